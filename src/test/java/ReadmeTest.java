/** The examples of README.md, line by line, with the answers that it tells. */
public final class ReadmeTest extends Checks {
    public static void main(String[] args) {
        messageByOneLink();
        linkThatFalls();
        finish("the examples of README.md hold");
    }

    private static void messageByOneLink() {
        part = "README, a message by one link";
        ThreeLinkPair pair = new ThreeLinkPair();
        pair.start(0, 0);
        pair.start(0, 1);
        for (int i = 0; i < 8; i++) {
            pair.tick();
        }
        bothAre(pair, 0, SERVING);
        yes("submit", pair.submit(0, 2, -5));
        pair.tick();
        pair.tick();
        due("inbox", pair.inbox(1), 1);
        long first = pair.take(1);
        due("kind", (int) (first >>> 32), 2);
        due("word", (int) first, -5);
    }

    private static void linkThatFalls() {
        part = "README, a link that falls";
        ThreeLinkPair pair = new ThreeLinkPair();
        for (int link = 0; link < 2; link++) {
            pair.start(link, 0);
            pair.start(link, 1);
        }
        for (int i = 0; i < 8; i++) {
            pair.tick();
        }
        yes("submit", pair.submit(0, 0, 7));
        due("link", pair.link(0, 0), 0);
        yes("stop", pair.stop(0, 0));
        due("changes", pair.changes(0, 0), 1);
        yes("submit", pair.submit(0, 0, 8));
        due("held", pair.held(0), 1);
        for (int i = 0; i < 5; i++) {
            pair.tick();
        }
        due("changes", pair.changes(0, 0), 0);
        due("link", pair.link(0, 0), 1);
        due("inbox", pair.inbox(1), 2);
        due("take", pair.take(1), 7);
        due("take", pair.take(1), 8);
        due("lost", pair.lost(), 0);
    }
}
