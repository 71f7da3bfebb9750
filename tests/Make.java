/** Makes planners for the tests. */
final class Make {
    private Make() {
    }

    /** A planner with scenes such as "a310-100!7 b200!5". */
    static CliffSerial novel(String scenes) {
        CliffSerial x = new CliffSerial();
        add(x, scenes);
        return x;
    }

    static void add(CliffSerial x, String scenes) {
        for (String scene : scenes.split(" ")) {
            String[] parts = scene.substring(1).split("[-!]");
            int slack = parts.length == 3 ? Integer.parseInt(parts[1]) : 0;
            int at = x.count(0);
            int got = x.insert(at, Integer.parseInt(parts[0]), slack, scene.charAt(0) - 'a',
                    Integer.parseInt(parts[parts.length - 1]));
            Check.due("insert of " + scene, got, at + 1);
        }
    }

    static void write(CliffSerial x, String text) {
        for (int i = 0; i < text.length(); i++) {
            x.append(text.charAt(i));
        }
    }

    static void skip(CliffSerial x, int weeks) {
        for (int i = 0; i < weeks; i++) {
            x.skip();
        }
    }

    /**
     * All that can be seen of a planner but its text and its history. The room of a week follows from
     * the rest and is left out, so that three looks stay below the 512 calls of an object.
     */
    static String looks(CliffSerial x) {
        StringBuilder looks = new StringBuilder();
        for (int what = 0; what <= 18; what++) {
            looks.append(x.count(what)).append(' ');
        }
        int scenes = x.count(0);
        for (int scene = 0; scene < scenes; scene++) {
            for (int what = 0; what <= 6; what++) {
                looks.append(x.scene(scene, what)).append(' ');
            }
        }
        for (int week = 0; week < 30; week++) {
            for (int what = 0; what <= 4; what += what == 1 ? 2 : 1) {
                looks.append(x.week(week, what)).append(' ');
            }
        }
        return looks.toString();
    }
}
