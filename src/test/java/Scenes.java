import java.util.stream.Stream;

/** Objects to begin a test with, as the rows that make them. */
final class Scenes {
    static final String[] NEW = {};

    /** Three districts, an image that they have gone on from, something in every place that can hold anything. */
    private static final String[] UP_TO_IMAGE = {
        "district(5, 3) = 0", "district(5, 9) = 1", "district(5, 0) = 2", "rule(2, 1) = 2", "days(9) = 4",
        "'fine d*100+b' = 0", "fine() = 924", "keep() = 3"};
    /** What the two days behind the image tell. */
    private static final String[] TOLD = {"tell(1) = 1", "tell(20) = 2", "tell(0) = 3", "tell(34) = 4"};
    private static final String[] BEHIND_IMAGE = {
        "turns(0, 4) = 5", "turns(1, 1) = 5", "rule(0, 30) = 20", "rule(1, 3) = 2", "rule(2, 0) = 1", "seed(77)",
        "'birth x+p' = 1", "'wage l*w' = 2", "days(5)", "set(1, 3, -70)", "hide(0) = 1", "told(2, 5) = 0",
        "sheet(0, 0, 5) = 5", "mark(0, 0, 8)", "mark(0, 1, -300)", "mark(0, 4, 11)",
        "sheet(1, 1, 4) = 4", "mark(1, 0, 99999)", "mark(1, 2, NONE)", "mark(1, 3, 7)", "sheet(3, 1, 0) = 0",
        "lay(0, 1, 0) = 0", "lay(1, 2, 1) = 0", "lay(2, 3, -77777) = 0", "<fine d+b*2> = 10"};
    static final String[] FEW = joined(UP_TO_IMAGE, TOLD, BEHIND_IMAGE);
    static final String[] FEW_NONE_WAIT = joined(UP_TO_IMAGE, BEHIND_IMAGE);
    static final String[] FEW_WITH_FAULT = joined(FEW, "trim(5) = 5");

    /** All that can be full is full. */
    static final String[] BRIM = {
        "keep() = 0", "deal(6) = 6", "days(20)", "13 x 'wage l+1'", "'fine b*3' = 13", "count(6) = 14", "60 x tell(0)",
        "sheet(0, 0, 24) = 24", "mark(0, 23, 5)", "<fine d> = 6", "7 x feed(538976288, 538976288, 538976288)",
        "trim(84) = 84", "feed(538976288, 538976288, 538976288) = 96"};
    /** One byte less than there would be room for. */
    static final String[] BRIM_85 = joined(BRIM, "trim(85) = 85");
    static final String[] BRIM_WITH_FAULT = joined(BRIM, "trim(0) = 0", "<fine d d> = 8");

    private Scenes() {
    }

    static String[] joined(String[] rows, String... more) {
        return Stream.concat(Stream.of(rows), Stream.of(more)).toArray(String[]::new);
    }

    private static String[] joined(String[] first, String[] second, String[] third) {
        return joined(joined(first, second), third);
    }
}
