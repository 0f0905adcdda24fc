import java.io.ByteArrayOutputStream;
import java.io.IOException;
import java.io.PrintStream;
import java.lang.reflect.Method;
import java.lang.reflect.Modifier;
import java.nio.file.Files;
import java.nio.file.Path;
import java.util.ArrayList;
import java.util.List;
import java.util.TreeSet;

/** README.md's example stands here to the letter, prints what it says, and its table names each call. */
public final class ReadmeTest extends Checks {
    private static final Path README = Path.of("README.md");
    private static final Path OWN = Path.of("src/test/java/ReadmeTest.java");

    private static void example() {
        // README begins
        Bandplan land = new Bandplan();
        int mast = land.addSite(2, 2, 10);
        int home = land.addSite(4, 2, 10);
        System.out.println(land.loss(mast, home)); // 360
        int radio = land.addStation(mast, home, 400, true);
        int guest = land.addStation(mast, home, 400, false);
        System.out.println(land.level(radio)); // 40

        // A protected station puts off the secondary ones that bar it, and answers how many.
        land.putOn(guest, 0);
        System.out.println(land.putOn(radio, 0)); // 1
        System.out.println(land.channelOf(guest, 0)); // -1
        try {
            land.putOn(guest, 0);
        } catch (UnsupportedOperationException e) {
            System.out.println("no room beside it"); // no room beside it
        }

        // On a foreign channel, a station near the border needs a yes: silence for three days.
        int hill = land.addSite(16, 2, 10);
        int coast = land.addSite(18, 2, 10);
        int far = land.addStation(hill, coast, 400, true);
        land.setForeign(5, true);
        System.out.println(land.askAbroad(far, 5)); // 3
        land.goOn(3);
        System.out.println(land.hasYes(far, 5)); // true
        land.putOn(far, 5);

        // A packing of all protected stations into one channel, and their places in it.
        System.out.println(land.canPack(1)); // true
        System.out.println(land.packed(1, far)); // 0

        // Prices fall from 100 by 10: who asks more than the next price stays, the others are bought.
        land.setAsked(far, 60);
        System.out.println(land.sell(100, 10, 1)); // 1
        System.out.println(land.priceOf(radio)); // 0
        System.out.println(land.rounds()); // 10

        // Those that stayed move to the channels of their packing, here with one crew.
        System.out.println(land.move(1)); // 1
        System.out.println(land.phaseOf(far)); // 1
        System.out.println(land.channelOf(far, 3)); // 0

        // Channels go to the greatest worths; each bidder pays what the others miss by that.
        int one = land.addBidder(50, 40, 0);
        int other = land.addBidder(45, 10, 0);
        System.out.println(land.buy(2)); // 2
        System.out.println(land.bought(one)); // 1
        System.out.println(land.pays(one)); // 10
        System.out.println(land.pays(other)); // 40
        // README ends
    }

    private static List<String> printed() {
        PrintStream before = System.out;
        ByteArrayOutputStream bytes = new ByteArrayOutputStream();
        System.setOut(new PrintStream(bytes, true));
        try {
            example();
        } finally {
            System.setOut(before);
        }
        return bytes.toString().lines().toList();
    }

    /** The lines of a file between two lines, without their indent. */
    private static List<String> between(Path file, String first, String last) throws IOException {
        List<String> found = new ArrayList<>();
        boolean isInside = false;
        for (String line : Files.readAllLines(file)) {
            String bare = line.strip();
            if (isInside && bare.equals(last)) {
                return found;
            }
            if (isInside) {
                found.add(bare);
            }
            isInside |= bare.equals(first);
        }
        tell("not found: " + first + " to " + last + " in " + file);
        return found;
    }

    private static void exampleHolds() throws IOException {
        List<String> shown = between(README, "```java", "```");
        List<String> run = between(OWN, "// README begins", "// README ends");
        if (!shown.equals(run)) {
            tell("README.md's example is not the one that is run here");
        }
        List<String> due = new ArrayList<>();
        for (String line : shown) {
            if (line.startsWith("System.out.println(")) {
                due.add(line.substring(line.indexOf("; // ") + 5));
            }
        }
        List<String> got = printed();
        if (!got.equals(due)) {
            tell("README.md's example prints " + got + ", it says " + due);
        }
    }

    private static void tableHolds() throws IOException {
        List<String> got = new ArrayList<>();
        for (String line : Files.readAllLines(README)) {
            String[] parts = line.split("`");
            for (int i = 1; line.startsWith("| ") && i < parts.length; i += 2) {
                got.add(parts[i]);
            }
        }
        TreeSet<String> due = new TreeSet<>();
        for (Method method : Bandplan.class.getDeclaredMethods()) {
            if (Modifier.isPublic(method.getModifiers())) {
                due.add(method.getName());
            }
        }
        if (got.size() != due.size() || !new TreeSet<>(got).equals(due)) {
            tell("README.md's table names " + got + ", the calls are " + due);
        }
    }

    public static void main(String[] args) throws IOException {
        exampleHolds();
        tableHolds();
        end("the example of README.md holds");
    }
}
