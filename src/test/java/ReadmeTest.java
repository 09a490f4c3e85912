import java.io.IOException;
import java.nio.file.Files;
import java.nio.file.Path;
import java.util.ArrayList;
import java.util.List;

/** README.md's example: each of its lines stands here too, in its order, and answers what it says behind it. */
final class ReadmeTest {
    private static final Due DUE = new Due();
    private static int next;

    public static void main(String[] args) throws IOException {
        List<String> lines = example();
        LockedHouse house = new LockedHouse();
        DUE.yes("it begins with a new object", lines.get(next++).equals("LockedHouse house = new LockedHouse();"));
        int door = house.prop(2, 0);
        says(lines, "int door = house.prop(2, 0);", door);
        int lamp = house.prop(3, 1);
        says(lines, "int lamp = house.prop(3, 1);", lamp);
        int push = house.step(0, 1, 5, 0);
        says(lines, "int push = house.step(0, 1, 5, 0);", push);
        says(lines, "house.need(push, lamp, 1);", house.need(push, lamp, 1));
        says(lines, "house.give(push, door, 1);", house.give(push, door, 1));
        int dim = house.step(0, 2, 3, 1);
        says(lines, "int dim = house.step(0, 2, 3, 1);", dim);
        says(lines, "house.give(dim, lamp, 0);", house.give(dim, lamp, 0));
        says(lines, "house.goal(door, 1);", house.goal(door, 1));

        says(lines, "house.count(8);", house.count(8));
        says(lines, "house.reached();", house.reached());
        says(lines, "house.least(2);", house.least(2));
        says(lines, "house.way(2);", house.way(2));
        says(lines, "house.row(0);", house.row(0));
        says(lines, "house.trap();", house.trap());
        DUE.rowIs("the trap that it tells", house, 2, 1, 0);
        says(lines, "house.row(1);", house.row(1));

        says(lines, "house.reading(door, 1);", house.reading(door, 1));
        says(lines, "house.reading(lamp, 2);", house.reading(lamp, 2));
        says(lines, "house.liars();", house.liars());
        says(lines, "house.row(0);", house.row(0));

        says(lines, "house.rule(door, lamp, 1);", house.rule(door, lamp, 1));
        says(lines, "house.back(1);", house.back(1));
        says(lines, "house.row(0);", house.row(0));
        says(lines, "house.exit(door, 1);", house.exit(door, 1));

        int group = house.enter(2);
        says(lines, "int group = house.enter(2);", group);
        says(lines, "house.act(group, dim);", house.act(group, dim));
        says(lines, "house.act(group, push);", house.act(group, push));
        says(lines, "house.alarm();", house.alarm());
        says(lines, "house.row(0);", house.row(0));
        DUE.is("lines of the example", lines.size(), next);
        DUE.end("ReadmeTest");
    }

    private static List<String> example() throws IOException {
        String text = Files.readString(Path.of("README.md"));
        String begin = "```java\n";
        int from = text.indexOf(begin) + begin.length();
        List<String> lines = new ArrayList<>();
        for (String line : text.substring(from, text.indexOf("```", from)).split("\n")) {
            if (!line.isBlank()) {
                lines.add(line);
            }
        }
        return lines;
    }

    private static void says(List<String> lines, String code, int got) {
        String line = next < lines.size() ? lines.get(next) : "";
        next++;
        DUE.yes(code + " stands where " + line + " stands", line.startsWith(code));
        DUE.yes(line + " answered " + got, line.contains("// " + got + ": "));
    }

    private static void says(List<String> lines, String code, boolean got) {
        says(lines, code, got ? 1 : 0);
    }
}
