import java.io.IOException;
import java.lang.reflect.Method;
import java.lang.reflect.Modifier;
import java.nio.file.Files;
import java.nio.file.Path;
import java.util.regex.Matcher;
import java.util.regex.Pattern;

/** README.md: what it says of the class holds, and the files that it names are there. */
final class ReadmeTest {
    private static final Due DUE = new Due();

    public static void main(String[] args) throws IOException {
        String readme = Files.readString(Path.of("README.md"));
        theExampleAnswersAsItSays();
        theExampleIsThatOfTheReadme(readme);
        eachCallIsNamed(readme);
        whatIsRunIsThere(readme);
        DUE.end();
    }

    private static void theExampleAnswersAsItSays() {
        CachehallDesk hall = new CachehallDesk();

        int compile = hall.action(3, 0, 1, 0, 10, 4);
        int link = hall.action(0, 1, 2, 2, 20, 6);
        int worker = hall.worker(0);
        int team = hall.team(30);

        DUE.is(31, hall.build(team, link));
        DUE.is(31, hall.build(team, link));
        DUE.is(0.5, hall.hitShare());
        DUE.is(0, hall.from(1, compile));
        DUE.is(0, hall.file(0, 7));
        DUE.is(2, hall.wouldRun(team, link));
        DUE.is(521, hall.build(team, link));
        DUE.is(0, hall.set(1, 3));
        DUE.is(0, hall.wouldRun(team, link));
        DUE.is(true, hall.wouldBeWrong(team, link));
        DUE.is(20, hall.ofTeam(team, 1));
        DUE.is(60, hall.ofWorker(worker, 2));
    }

    /** The lines above are those of the README, with the answers that it tells. */
    private static void theExampleIsThatOfTheReadme(String readme) throws IOException {
        Matcher example = Pattern.compile("(?s)```java\n(.*?)```").matcher(readme);
        DUE.is(true, example.find());
        String lines = example.group(1)
                .replaceAll("(?m)^(.+\\));\\s*// -> (\\S+).*$", "DUE.is($2, $1);")
                .replaceAll("(?m)\\s*//.*$", "");
        String here = Files.readString(Path.of("src/test/java/ReadmeTest.java")).replaceAll("(?m)^ +", "");
        DUE.is(true, here.contains("{\n" + lines + "}\n"));
    }

    private static void eachCallIsNamed(String readme) {
        for (Method method : CachehallDesk.class.getDeclaredMethods()) {
            if (Modifier.isPublic(method.getModifiers())) {
                String call = "`" + method.getName() + "\\((\\w+(, )?){" + method.getParameterCount() + "}\\)`";
                DUE.is(true, Pattern.compile(call).matcher(readme).find());
            }
        }
    }

    /** What is under ../shared may change, so it is not asked for here. */
    private static void whatIsRunIsThere(String readme) {
        String[] named = {"src/main/java/CachehallDesk.java", ".ci/run", "src/test/java/BuildingTest.java"};
        for (String file : named) {
            DUE.is(true, readme.contains(file));
            DUE.is(true, Files.exists(Path.of(file)));
        }
        DUE.is(true, Files.isExecutable(Path.of(".ci/run")));
    }
}
