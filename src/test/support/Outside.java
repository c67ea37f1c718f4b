import java.util.Arrays;

/** Numbers outside a range: just outside, such as shifts and narrow types would take for one inside, the farthest. */
final class Outside {
    private Outside() {
    }

    static int[] of(int least, int most) {
        int[] some = {
            least - 1, most + 1, least - 2, most + 2, least - 32, most + 32, least + 32, least + 64, least + 256,
            least + 4096, least + 65536, -least - 1, -most - 1, least | 1 << 31, most | 1 << 31,
            Integer.MIN_VALUE, Integer.MIN_VALUE + 10, Integer.MAX_VALUE - 10, Integer.MAX_VALUE};
        return Arrays.stream(some).filter(n -> n < least || n > most).distinct().toArray();
    }
}
