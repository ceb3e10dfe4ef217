import java.io.IOException;
import java.lang.reflect.Method;
import java.lang.reflect.Modifier;
import java.nio.charset.StandardCharsets;
import java.nio.file.Files;
import java.nio.file.Path;

/** README.md: each call that it shows answers as it says there, and it shows each call. */
public final class ReadmeTest {
    private static final Check CHECK = new Check("ReadmeTest");

    private final String readme;
    private final GnomonYard yard = new GnomonYard();
    private int told = 0;

    private ReadmeTest(String readme) {
        this.readme = readme;
    }

    public static void main(String[] args) throws IOException {
        Path path = Path.of("README.md");
        ReadmeTest test = new ReadmeTest(Files.readString(path, StandardCharsets.UTF_8));
        test.sky();
        test.dials();
        test.cutsAndFinds();
        test.isWhole();
        CHECK.end();
    }

    /** README.md shows the call with this answer, and the call answers so. */
    private void shows(String call, String answer, Check.Call got) {
        told++;
        boolean isShown = readme.lines().anyMatch(line -> line.contains(call + ";")
                && line.contains("// " + answer + ":"));
        CHECK.holds(isShown, "README.md does not show " + call + " with " + answer);
        CHECK.due(Float.parseFloat(answer), call, got);
    }

    private void sky() {
        shows("yard.sine(30)", "500", () -> yard.sine(30));
        shows("yard.day(90, 0)", "23", () -> yard.day(90, 0));
        shows("yard.sun(45, 0, 180, 0)", "705000000", () -> yard.sun(45, 0, 180, 0));
        shows("int place = yard.place(45, 0)", "0", () -> yard.place(45, 0));
        shows("int south = yard.place(30, 20)", "1", () -> yard.place(30, 20));
        shows("yard.light(place, 90, 0)", "65", () -> yard.light(0, 90, 0));
        shows("yard.lightAnew(place, 90)", "231", () -> yard.lightAnew(0, 90));
        shows("yard.hour(place, 90, 180, 0)", "5", () -> yard.hour(0, 90, 180, 0));
        CHECK.holds(readme.contains("yard.summer(80, 260);"), "README.md shows another summer");
        yard.summer(80, 260);
        shows("yard.hour(south, 90, 180, 3)", "758", () -> yard.hour(1, 90, 180, 3));
    }

    private void dials() {
        CHECK.holds(readme.contains("int dial = yard.dial(place, 40, 0, 100);"),
                "README.md shows another dial");
        yard.dial(0, 40, 0, 100);
        shows("yard.shadow(dial, 0, 180, true)", "8", () -> yard.shadow(0, 0, 180, true));
        shows("yard.blur(dial, 0, 180)", "1.0093458f", () -> yard.blur(0, 0, 180));
        shows("yard.line(dial, 12, 0)", "1", () -> yard.line(0, 12, 0));
        shows("yard.read(dial, 0, 10, 0)", "180", () -> yard.read(0, 0, 10, 0));
        shows("yard.stand(dial, south, 40, 0)", "0", () -> yard.stand(0, 1, 40, 0));
        shows("yard.tells(dial, 0, 150)", "149", () -> yard.tells(0, 0, 150));
        shows("yard.worst(dial, 0, 0)", "1", () -> yard.worst(0, 0, 0));
        shows("yard.best(dial, south, 0)", "25", () -> yard.best(0, 1, 0));
    }

    private void cutsAndFinds() {
        shows("yard.cut(dial, 12, -4)", "308", () -> yard.cut(0, 12, -4));
        shows("yard.lies(dial)", "4", () -> yard.lies(0));
        shows("yard.cost()", "308", yard::cost);
        shows("yard.find(0, 180, 0, 8)", "1", () -> yard.find(0, 180, 0, 8));
        shows("yard.fits(40, 0, 100, 1)", "45", () -> yard.fits(40, 0, 100, 1));
        shows("yard.forget()", "1", yard::forget);
    }

    private void isWhole() {
        long answers = readme.lines().filter(line -> line.matches(".*; +// [-0-9.f]+:.*")).count();
        CHECK.holds(answers == told, "README.md tells " + answers + " answers, tested " + told);
        for (Method method : GnomonYard.class.getDeclaredMethods()) {
            boolean isPublic = Modifier.isPublic(method.getModifiers());
            CHECK.holds(!isPublic || readme.contains("yard." + method.getName() + "("),
                    "README.md does not show " + method.getName());
        }
    }
}
