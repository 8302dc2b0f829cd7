/** Promises 5 and 6: sine and lean. */
public final class AnglesTest {
    public static void main(String[] args) {
        CountedPendulum x = new CountedPendulum();
        CountedPendulum many = new CountedPendulum();
        int[] angles = {0, 1, 2, 3, 100, 256, 512, 1023, 1024, 1025, 2046, 2047};
        int[] sines = {0, 6, 12, 19, 632, 1571, 2891, 4095, 4096, 4095, 12, 6};
        for (int k = 0; k < angles.length; k++) {
            Checks.due("sine " + angles[k], x.sine(angles[k]), sines[k]);
            Checks.due("sine " + (angles[k] + 2048), x.sine(angles[k] + 2048), -sines[k]);
        }
        for (int angle = 0; angle < 4096; angle++) {
            many = many.callsLeft() < 2 ? new CountedPendulum() : many;
            Checks.due("sine " + angle, many.sine(angle), sineByText(angle));
            Checks.due("lean " + angle, many.lean(angle), angle < 2048 ? angle : angle - 4096);
        }
        Checks.due("lean 2047", x.lean(2047), 2047);
        Checks.due("lean 2048", x.lean(2048), -2048);
        for (int wrong : new int[] {-1, 4096, 8192, -4096, Integer.MIN_VALUE, Integer.MAX_VALUE}) {
            Checks.throwsArgument("sine " + wrong, () -> x.sine(wrong));
            Checks.throwsArgument("lean " + wrong, () -> x.lean(wrong));
        }
        Checks.finish();
    }

    private static long sineByText(int angle) {
        if (angle >= 2048) {
            return -sineByText(angle - 2048);
        }
        long p = angle * (2048L - angle);
        return 65536L * p / (20971520L - 4L * p);
    }
}
