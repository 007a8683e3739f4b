import java.util.ArrayList;
import java.util.Arrays;
import java.util.List;
import java.util.Map;
import java.util.TreeMap;
import java.util.TreeSet;

/**
 * Which questions see what a call has changed: in one town each thing that can be changed is changed
 * alone, and just those questions answer otherwise that the document lets see it, no other one; when
 * it is changed back, all answer as before.
 */
public final class SeenByTest {
    private static final String MOVES = "text 3b.0d.1c..2a.";

    /** Chosen so that each change shows in each question that may see it; the moves can be, the sight is true. */
    private static final String TOWN = "cellars 4; tide 4720618; barrel 0 0 3 1 0; barrel 1 1 4 1 1; barrel 2 2 2 2 0; barrel 3 0 5 3 2;"
        + "set 0 15; set 1 99; set 2 2; set 3 6; set 4 12; set 5 30; seen 0 5 13;" + MOVES;

    /** Those that ask how sour a barrel gets with nothing moved. */
    private static final String SOURNESS = "acid sours lost plan value opening banquet poured likely mean drought year ";
    private static final String SIGHTS = "walls moons open ";

    private static final Script script = new Script("seen by");

    public static void main(String[] args) {
        cellarsAndBarrels();
        settings();
        padAndTable();
        sights();
        images();
        script.end();
    }

    private static void cellarsAndBarrels() {
        seen("DEPTH", "cellar 0 0 2", "cellar 0 0 0", "told10 breath quiet judge behind hands " + SOURNESS + SIGHTS);
        seen("ROOM", "cellar 1 1 1", "cellar 1 1 8", "told21 judge behind hands plan");
        seen("a WALL", "wall 0 true", "wall 0 false", "told30 breath quiet behind " + SOURNESS + "moons open");
        seen("a WALL that there is", "wall 1 false", "", "");
        seen("where a BARREL lies", "barrel 0 1 3 1 0", "barrel 0 0 3 1 0", "told100 judge behind hands " + SOURNESS + SIGHTS);
        seen("SIZE", "barrel 0 0 4 1 0", "barrel 0 0 3 1 0", "told101 judge hands lost plan value opening banquet poured mean year");
        seen("CORK", "barrel 0 0 3 2 0", "barrel 0 0 3 1 0", "told102 behind " + SOURNESS + SIGHTS);
        seen("KIND", "barrel 0 0 3 1 3", "barrel 0 0 3 1 0", "told103 value opening banquet poured");
        seen("a BARREL that goes", "drink 0", "barrel 0 0 3 1 0", "told2 told100 told101 told102 told103 judge behind hands " + SOURNESS + SIGHTS);
        seen("a BARREL that comes", "barrel 5 0 9 0 1", "drink 5",
            "told2 told600 told601 told602 told603 behind " + SOURNESS);
        seen("as it was", "barrel 0 0 3 1 0; cellar 0 0 0; cellar 0 1 8; set 0 15; set 2 2; set 3 6", "", "");
    }

    private static void settings() {
        seen("SOUR", "set 0 1", "set 0 15", "told3 sours lost plan value opening banquet poured likely mean drought year");
        seen("HANDS", "set 1 5", "set 1 99", "told4 judge behind");
        seen("PHASE", "set 2 3", "set 2 2", "told5 level breath behind " + SOURNESS + "walls open");
        seen("a PHASE that is left over the same", "set 2 9", "set 2 2", "told5");
        seen("PEAK of KIND 0", "set 3 3", "set 3 6", "told40 value opening banquet");
        seen("PEAK of KIND 1", "set 4 3", "set 4 12", "told41 value opening banquet");
        seen("PEAK of KIND 3, of which there is none", "set 6 3", "set 6 20", "told43");
    }

    private static void padAndTable() {
        seen("a move more", "say 51; say 100", MOVES, "told0 judge behind hands");
        seen("a day more", "say 46", MOVES, "told0 judge behind");
        seen("a FAULT", "say 57", MOVES, "told0 fault judge behind hands");
        seen("no signs", "wipe", MOVES, "told0 fault judge behind hands");
        seen("another TABLE", "tide 036913;" + MOVES, "tide 4720618;" + MOVES,
            "told6 level breath behind quiet shifts period " + SOURNESS + SIGHTS);
        seen("the same TABLE twice over", "tide 47206184720618;" + MOVES, "tide 4720618;" + MOVES, "told6 moons shifts");
        seen("fewer CELLARS", "cellars 3", "", "told1 told2 told7 told13 told23 told33 told100 told101 told102 told103 told200 told201 told202 told203"
            + " told300 told301 told302 told303 told400 told401 told402 told403 fault breath quiet judge behind hands " + SOURNESS + SIGHTS);
    }

    private static void sights() {
        seen("a SIGHT that is not true", "seen 0 3 0", "forget; seen 0 5 13", "told7 walls moons open");
        seen("a SIGHT that is, of another CELLAR", "seen 1 3 4", "forget; seen 0 5 13", "told7 walls");
        seen("the same SIGHT again", "seen 0 5 13", "forget; seen 0 5 13", "told7");
        seen("no SIGHTS", "forget", "seen 0 5 13", "told7 walls moons open");
    }

    private static void images() {
        seen("an IMAGE", "image 0; image 1", "", "");
        seen("what was kept", "image 0; cellar 0 0 5; barrel 0 3 9 9 3; drink 1; set 0 1; set 2 7; forget; wall 1 true; restore 0", "", "");
        seen("what was kept, but for the PAD", "image 1; say 46; cellars 1; restore 1", MOVES, "told0 judge behind");
        seen("a TABLE that was kept", "image 1; tide 8; restore 1;" + MOVES, "", "");
    }

    /** Just the named questions answer otherwise behind a change; behind the change back none does. */
    private static void seen(String what, String change, String back, String names) {
        Map<String, List<Long>> before = look(what, TOWN);
        Map<String, List<Long>> after = look(what, TOWN + ";" + change);
        TreeSet<String> want = new TreeSet<>(Arrays.asList(names.isBlank() ? new String[0] : names.trim().split(" +")));
        TreeSet<String> found = differing(before, after);
        script.due("seen by " + found + ", due is " + want, found.equals(want));
        if (back.isEmpty()) return;
        TreeSet<String> still = differing(before, look(what + ", and back", TOWN + ";" + change + ";" + back));
        script.due("changed back, but seen by " + still, still.isEmpty());
    }

    private static TreeSet<String> differing(Map<String, List<Long>> one, Map<String, List<Long>> other) {
        TreeSet<String> names = new TreeSet<>();
        for (String name : one.keySet()) if (!one.get(name).equals(other.get(name))) names.add(name);
        return names;
    }

    private static final int[] NONE = {}, BARRELS = {0, 1, 2, 3, 5}, CELLARS = {0, 1, 2, 3}, TWO = {0, 1};

    private static Map<String, List<Long>> look(String what, String steps) {
        script.run(what, steps);
        Map<String, List<Long>> all = new TreeMap<>();
        CellarTides x = script.town();
        int made = script.calls() + lookAtState(x, all);
        made += each(x, all, "fault", TWO) + each(x, all, "level", new int[] {0, 1, 2, 3, 4, 5, 6})
            + each(x, all, "breath", CELLARS, new int[] {0, 1, 2, 5}) + each(x, all, "judge", new int[] {0, 1, 2, 3})
            + each(x, all, "behind", BARRELS, TWO) + each(x, all, "hands") + each(x, all, "acid", BARRELS, new int[] {1, 3, 5, 8})
            + each(x, all, "sours", BARRELS) + each(x, all, "lost", new int[] {2, 4, 6, 9, 13, 20})
            + each(x, all, "plan", new int[] {1, 3, 9, 15, 33}, new int[] {6, 8}, new int[] {-1, 0, 3})
            + each(x, all, "value", BARRELS, new int[] {0, 3, 6}) + each(x, all, "opening", BARRELS, TWO) + each(x, all, "banquet", TWO)
            + each(x, all, "poured", new int[] {4, 6, 7, 8, 9}, new int[] {-1, 0}) + each(x, all, "likely", new int[] {0, 3, 5}, new int[] {3, 5, 7}, new int[] {3}, TWO)
            + each(x, all, "mean", new int[] {3, 5, 7}, new int[] {4}, TWO) + each(x, all, "walls") + each(x, all, "moons") + each(x, all, "open", TWO)
            + each(x, all, "shifts", new int[] {3, 7}, new int[] {1, 3}, TWO) + each(x, all, "drought", new int[] {3, 5, 8, 20})
            + each(x, all, "quiet", CELLARS) + each(x, all, "period") + each(x, all, "year", new int[] {5}, new int[] {4, 5, 6, 8}, new int[] {3}, TWO);
        script.due("more calls than are promised: " + made, made <= Script.MOST_CALLS);
        return all;
    }

    private static int lookAtState(CellarTides x, Map<String, List<Long>> all) {
        int made = 0;
        for (int what = 0; what < 1000; what++) {
            boolean ofState = what < 8 || what >= 10 && what < 44 && what % 10 < 4 || what >= 100 && what % 100 < 4 && what / 100 < 7 && what / 100 != 5;
            if (!ofState) continue;
            all.put("told" + what, List.of((long) x.told(what)));
            made++;
        }
        return made;
    }

    /** A call with every choice of numbers; how many calls that were. */
    private static int each(CellarTides x, Map<String, List<Long>> all, String name, int[]... choices) {
        List<Long> answers = new ArrayList<>();
        eachOf(x, name, choices, new ArrayList<>(), answers);
        all.put(name, answers);
        return answers.size();
    }

    private static void eachOf(CellarTides x, String name, int[][] choices, List<Object> numbers, List<Long> answers) {
        if (numbers.size() == choices.length) {
            answers.add(Script.ask(x, name, numbers));
            return;
        }
        for (int choice : choices[numbers.size()]) {
            numbers.add(choice);
            eachOf(x, name, choices, numbers, answers);
            numbers.remove(numbers.size() - 1);
        }
    }
}
