/** What the document says ahead of its parts. */
final class TermsEdges {
    private static final String TERMS = "terms";

    private TermsEdges() {
    }

    static void all() {
        calls();
        numbers();
        divided();
        fractions();
        order();
        findings();
        Sentences.edge(TERMS, "What is refused, or found, changes nothing but status().");
        Refusals.all();
        Sentences.plain(TERMS, "Sets are bits.");
    }

    private static void calls() {
        Sentences.edge("what it is", "An object is used for at most 512 calls after it has been made;");
        Run run = Run.of(Run.MANY);
        int made = Run.MANY.length() + 1;
        for (; made < 450; made += 2) {
            run.says("years(1) = 0", "undo() = 0");
        }
        for (; made < 510; made++) {
            run.says("count(1) = 6");
        }
        run.says("years(3) = 9", "count(4) = 39");
        Sentences.plain("what it is",
                "A judge must live beside whom he has sentenced: it is by the wisdom of this small "
            + "circuit that when it is over they are given the two halves of a house, and there he will be, over the "
            + "fence, of a morning, with his hoe, so sentences are for as long as could be borne, whoever gets life has "
            + "his lordship's lamp to look at, there is to be one gate, they borrow sugar, some on coming out have gone "
            + "on living there, there was one had got it wrong, he had come to know it by how the fellow planted beans; "
            + "judges with their gates, men of kinds by how they come to trust, who wait for whom, for how many years, "
            + "told in a text; years, men sent to others, sentences changed, gates opened, judges more severe; who lives "
            + "beside whom when, who is out, who has settled; to which judges to send those who wait, which gates to "
            + "open, the fewest to be let off, exactly; shares of beans; of which kind a man was, how severe his judge, "
            + "how much he trusted, by how trust grew, all that fits; how likely one settles, if fences are mended; two "
            + "judges by turns; decades by draws; all undone, images.", "what later calls answer is free.");
    }

    private static void numbers() {
        Sentences.edge(TERMS, "Numbers go from 0 on.");
        Run.of("l1,1;j0,0;w0,1;")
            .says("man(0, 2) = 1", "man(-1, 2) = BAD", "man(1, 2) = BAD")
            .says("judge(0, 3) = 1", "judge(-1, 3) = BAD", "judge(1, 3) = BAD")
            .says("row(0, 0, 1) = 1", "row(-1, 0, 1) = BAD", "set(0, 0, 5) = 5", "set(0, -1, 5) = PLACE",
                "set(0, 1, 5) = PLACE")
            .says("ask(0, 0) = -99", "trace(0) = 13", "trace(1) = 10", "trace(-1) = NONE");
    }

    private static void divided() {
        Sentences.edge(TERMS, "All that is divided is cut towards 0,");
        Run.of("l9,60;j2,0;t0,30;")
            .says("man(0, 4) = 9", "severe(0, 3) = 2", "man(0, 4) = 8", "severe(0, 5) = 3", "man(0, 4) = 8")
            .says("severe(0, 6) = 5", "man(0, 4) = 7", "severe(0, 8) = 6", "man(0, 4) = 7", "severe(0, 9) = 8",
                "man(0, 4) = 6");
        // trust is 1, 2 and 9: of 11 beans 0.9, 1.8 and 8.25
        Run.of("l1,60;j0,0;j0,1;j9,1;t0,9;t1,9;w2,9;").says("years(1) = 0")
            .says("share(0, 11) = 1", "share(1, 11) = 2", "share(2, 11) = 8");
    }

    private static void fractions() {
        Sentences.edge(TERMS, "but fractions, told as two numbers in lowest terms (0 is 0 by 1).");
        // he settles if the fences are mended in none of his two years
        Run.of("l3,6;j4,1;t0,2;")
            .says("fence(0, 2, 5, 0) = 1", "fence(0, 2, 5, 1) = 4").says("fence(0, 2, 2, 0) = 16",
                "fence(0, 2, 2, 1) = 25")
            .says("fence(0, 2, 0, 0) = 1", "fence(0, 2, 0, 1) = 1").says("fence(0, 2, 10, 0) = 0",
                "fence(0, 2, 10, 1) = 1")
            .says("fence(0, 1, 5, 0) = 0", "fence(0, 1, 5, 1) = 1").says("fence(0, 0, 5, 0) = 0",
                "fence(0, 0, 5, 1) = 1");
    }

    private static void order() {
        Sentences.edge(TERMS,
                "Refusals are answers, the first of these that fits, but as told: BAD (a number is not as told; "
            + "there is no such thing), STATE (as told), FULL (as told), then FINDINGS, of several the first in time:");
        Run.of(Run.QUEUE).says("years(2) = 0", "stand(2) = 1")
            .says("send(0, 0) = STATE", "send(0, 1) = BAD", "send(3, 0) = BAD")
            .says("sentence(0, 1) = STATE", "sentence(0, 0) = BAD", "sentence(0, 31) = BAD")
            .says("retry(1, 0, 1) = STATE", "retry(1, 0, 31) = BAD", "retry(1, 1, 1) = BAD")
            .says("restore(1) = STATE", "restore(2) = BAD");
        Run.fresh().says("image(1) = STATE", "image(2) = BAD").says("years(1) = STATE", "years(0) = STATE")
            .says("stand(6) = STATE", "sending(0, -2) = STATE", "gates(0, 2) = STATE", "let(31, 2) = STATE",
                "drawn(61, 0, 2) = STATE");
        Run full = Run.of(Run.QUEUE);
        for (int i = 0; i < 41; i++) {
            full.does("years(24)");
        }
        full.says("years(16) = FULL", "years(24) = FULL", "years(25) = BAD", "years(0) = BAD");
        for (int i = 0; i < 120; i++) {
            full.does("feed(0)");
        }
        full.says("feed(0) = FULL", "feed(256) = BAD", "feed(-1) = BAD");
        Run.of(Run.QUEUE).says("row(0, 2, -1) = SIZE", "row(0, 3, -1) = BAD", "row(8, 2, -1) = BAD")
            .says("who(0, 0, 0, 0, 1) = NULL", "who(0, 0, 0, 0, 13) = BAD", "who(0, 3, 0, 0, 1) = BAD",
                "who(3, 0, 0, 0, 1) = BAD")
            .says("severes(0, 0, 0, 0, 1) = NULL", "severes(1, 0, 0, 0, 1) = BAD", "likes(0, 0, 0, 0, 1) = NULL",
                "likes(0, 2, 0, 0, 1) = BAD")
            .says("copy(0, 0, 1, 0, 1) = NULL", "copy(0, 0, 8, 0, 1) = BAD", "copy(8, 0, 0, 0, 1) = BAD")
            .says("set(0, -1, 0) = NULL", "who(0, 0, 0, -1, 1) = NULL", "copy(0, -1, 1, 0, 1) = NULL")
            .says("row(0, 2, 1) = 1", "row(1, 1, 1) = 1", "copy(0, -1, 1, 0, 1) = STORE",
                "copy(0, -1, 2, 0, 1) = NULL");
    }

    private static void findings() {
        Sentences.edge(TERMS,
                "-1000010 less 1 NULL (a ROW that is missing), 2 PLACE (no such place of a ROW), 3 KIND (a MAN that "
            + "is not that), 4 SIZE (fewer than none), 5 STORE (ROWS of two LANES).");
        Run.of(Run.QUEUE).says("set(0, 0, 1) = -1000011", "status() = 1").says("row(0, 0, 0) = 0",
                "set(0, 0, 1) = -1000012", "status() = 2")
            .says("as(0, 4) = -1000013", "status() = 3").says("row(0, 0, -1) = -1000014", "status() = 4")
            .says("row(1, 1, 0) = 0", "copy(0, 0, 1, 0, 0) = -1000015", "status() = 5");
    }
}
